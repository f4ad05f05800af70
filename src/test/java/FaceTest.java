import java.lang.reflect.Field;
import java.lang.reflect.Member;
import java.lang.reflect.Method;
import java.lang.reflect.Modifier;
import java.util.ArrayList;
import java.util.Collections;
import java.util.List;

/** The public face: just the document's constants, constructor and methods, and nothing else to be seen. */
public final class FaceTest {
    private static final String METHODS = "append cut drop feed field find fresh heading letter list many mark "
        + "place read shown subfield write";
    private static final String CONSTANTS = "DIRECTORY END FIELD LEADER NONE ROOM TOTAL";

    private static List<String> visible(Member[] members) {
        List<String> names = new ArrayList<>();
        for (Member member : members) {
            if (!Modifier.isPrivate(member.getModifiers())) {
                names.add(member.getName());
            }
        }
        Collections.sort(names);
        return names;
    }

    public static void main(String[] args) throws ReflectiveOperationException {
        Check check = new Check("FaceTest");
        Class<?> face = RecordShelf.class;
        check.due("a final class", Modifier.isFinal(face.getModifiers()), true);
        check.dueText("the methods", String.join(" ", visible(face.getDeclaredMethods())), METHODS);
        check.dueText("the constants", String.join(" ", visible(face.getDeclaredFields())), CONSTANTS);
        check.due("constructors", face.getDeclaredConstructors().length, 1);
        check.due("a public constructor", Modifier.isPublic(face.getConstructor().getModifiers()), true);
        for (Field field : face.getFields()) {
            check.due(field.getName() + " is static and final",
                Modifier.isStatic(field.getModifiers()) && Modifier.isFinal(field.getModifiers()), true);
        }
        for (Method method : face.getDeclaredMethods()) {
            if (Modifier.isPrivate(method.getModifiers())) {
                check.due(method.getName() + " bears a public name", (" " + METHODS + " ").contains(" " + method.getName() + " "), false);
            } else {
                check.due(method.getName() + " is public", Modifier.isPublic(method.getModifiers()), true);
            }
        }
        check.due("NONE", RecordShelf.NONE, -1);
        check.due("ROOM", RecordShelf.ROOM, -2);
        check.due("LEADER", RecordShelf.LEADER, -3);
        check.due("DIRECTORY", RecordShelf.DIRECTORY, -4);
        check.due("TOTAL", RecordShelf.TOTAL, -5);
        check.due("FIELD", RecordShelf.FIELD, -6);
        check.due("END", RecordShelf.END, -7);
        check.end();
    }
}
