import java.lang.reflect.Field;

/** No call tells the numbers of a row, so they are looked at inside. */
final class Rows {
    private Rows() {
    }

    static long number(WarByHours x, int slot, int i) {
        return ((long[]) inside(x, "numbers"))[60 * slot + i];
    }

    /** All four SLOTS, with WIDTH, size and numbers. */
    static String all(WarByHours x) {
        StringBuilder out = new StringBuilder("rows");
        boolean[] has = (boolean[]) inside(x, "has");
        int[] widths = (int[]) inside(x, "widths");
        int[] sizes = (int[]) inside(x, "sizes");
        for (int slot = 0; slot < 4; slot++) {
            out.append(" [").append(has[slot] ? widths[slot] + " of " + sizes[slot] + ":" : "nothing");
            for (int i = 0; has[slot] && i < sizes[slot]; i++) {
                out.append(' ').append(number(x, slot, i));
            }
            out.append(']');
        }
        return out.toString();
    }

    private static Object inside(WarByHours x, String name) {
        try {
            Field slots = WarByHours.class.getDeclaredField("slots");
            slots.setAccessible(true);
            Field field = slots.get(x).getClass().getDeclaredField(name);
            field.setAccessible(true);
            return field.get(slots.get(x));
        } catch (ReflectiveOperationException e) {
            throw new IllegalStateException(e);
        }
    }
}
