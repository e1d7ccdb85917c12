import java.lang.reflect.Constructor;
import java.lang.reflect.Field;
import java.lang.reflect.Method;
import java.lang.reflect.Modifier;
import java.util.Arrays;
import java.util.TreeSet;

/** The public face: just what the document tells, and nothing beside it that others could see. */
public final class FaceTest {
    public static void main(String[] args) {
        TreeSet<String> want = new TreeSet<>(Arrays.asList(
                "boolean text(long)", "int read()", "boolean branch()", "int job(int,int)", "int needs(int,int)",
                "int check()", "int culprit()", "int expand(int)", "int expanded(int,int)", "int pair(int,int,int)",
                "int step(int,int,int)", "boolean wants(int,int)"));
        TreeSet<String> got = new TreeSet<>();
        TreeSet<String> hidden = new TreeSet<>();
        for (Method method : PipelineText.class.getDeclaredMethods()) {
            String parameters = Arrays.toString(method.getParameterTypes()).replaceAll("[\\[\\] ]", "");
            if (Modifier.isPrivate(method.getModifiers())) {
                hidden.add(method.getName());
            } else {
                got.add(method.getReturnType() + " " + method.getName() + "(" + parameters + ")");
            }
        }
        Due.due("the methods", got.toString(), want.toString());
        for (String signature : want) {
            String name = signature.replaceAll(".* (.*)\\(.*", "$1");
            Due.due("a private method called " + name, hidden.contains(name), false);
        }
        for (Field field : PipelineText.class.getDeclaredFields()) {
            boolean open = !Modifier.isPrivate(field.getModifiers());
            Due.due("the field " + field.getName() + " is open", open, field.getName().equals("NONE"));
        }
        Constructor<?>[] constructors = PipelineText.class.getDeclaredConstructors();
        Due.due("constructors", constructors.length, 1);
        Due.due("the constructor is public", Modifier.isPublic(constructors[0].getModifiers()), true);
        Due.due("the class is final", Modifier.isFinal(PipelineText.class.getModifiers()), true);
        Due.due("NONE", PipelineText.NONE, -1);
        Due.end();
    }
}
