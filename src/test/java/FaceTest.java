import java.lang.reflect.Constructor;
import java.lang.reflect.Field;
import java.lang.reflect.Method;
import java.lang.reflect.Modifier;
import java.util.Arrays;
import java.util.Set;
import java.util.TreeSet;

/** The public face of the document, and no other member that is not private. */
public final class FaceTest {
    private static final String[] FACE = {"add(int,int,int):int", "remove(int,int):int", "setWeight(int,int,int):int",
        "setLimit(int):int", "moveIn(int,int):int", "evict(int,int):int", "compress():int", "expand():int",
        "rank(int,int):int", "nth(int,int):int", "weight(int,int):int", "count(int,int):int", "house(int,int):int",
        "houseOf(int,int):int", "between(int,int):int", "tour():int", "whole(int):int", "reason(int,int):int",
        "savedBy(int):int", "bestMove():int", "costWith(int):int", "housesFor(int,int):int", "type(int):int",
        "clearCommands():int", "runCommands():int", "undo():int", "digest():long"};

    public static void main(String[] args) throws ReflectiveOperationException {
        Check check = new Check();
        int modifiers = RoadNames.class.getModifiers();
        check.tell("the class", Modifier.toString(modifiers), "public final");
        Set<String> methods = new TreeSet<>();
        Set<String> names = new TreeSet<>();
        for (Method method : RoadNames.class.getDeclaredMethods()) {
            if (!Modifier.isPrivate(method.getModifiers())) {
                check.tell(method.getName(), Modifier.toString(method.getModifiers()), "public");
                methods.add(signature(method));
                names.add(method.getName());
            }
        }
        check.tell("the methods", methods.toString(), new TreeSet<>(Arrays.asList(FACE)).toString());
        for (Method method : RoadNames.class.getDeclaredMethods()) {
            boolean taken = Modifier.isPrivate(method.getModifiers()) && names.contains(method.getName());
            check.due("a private method named " + method.getName(), taken ? 1 : 0, 0);
        }
        Constructor<?>[] constructors = RoadNames.class.getDeclaredConstructors();
        check.due("constructors", constructors.length, 1);
        check.due("public without parameters", RoadNames.class.getConstructor().getParameterCount(), 0);
        for (Field field : RoadNames.class.getDeclaredFields()) {
            String due = field.getName().equals("NONE") ? "public static final" : "private";
            check.due("field " + field.getName(), Modifier.toString(field.getModifiers()).startsWith(due) ? 1 : 0, 1);
        }
        check.end("FaceTest");
    }

    private static String signature(Method method) {
        StringBuilder text = new StringBuilder(method.getName()).append('(');
        String comma = "";
        for (Class<?> type : method.getParameterTypes()) {
            text.append(comma).append(type);
            comma = ",";
        }
        return text.append("):").append(method.getReturnType()).toString();
    }
}
