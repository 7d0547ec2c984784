import java.lang.reflect.Field;

/**
 * Numbers inside an object, for the few sentences whose edge no run of calls can reach. An object
 * that holds its state in another way, which the document leaves free, is told apart and left alone.
 */
final class Inside {
    private Inside() {
    }

    /** Sets the number at the end of a path of fields; answers false if there is no such path. */
    static boolean set(Object from, String path, int value) {
        try {
            Object at = from;
            String[] names = path.split("\\.");
            for (int i = 0; i < names.length - 1; i++) {
                at = field(at, names[i]).get(at);
            }
            field(at, names[names.length - 1]).setInt(at, value);
            return true;
        } catch (ReflectiveOperationException | IllegalArgumentException e) {
            System.out.println("not looked at, there is no " + path + ": " + e);
            return false;
        }
    }

    private static Field field(Object at, String name) throws ReflectiveOperationException {
        Field field = at.getClass().getDeclaredField(name);
        field.setAccessible(true);
        return field;
    }
}
