import java.util.ArrayList;
import java.util.List;
import java.util.regex.Matcher;
import java.util.regex.Pattern;

/**
 * Reads a text of entries with patterns, an entry at a time. An entry that does not match as a
 * whole has a fault, which is looked for piece by piece.
 */
final class ModelReader {
    private static final Pattern WHOLE = Pattern.compile(
        "(\\d{1,3})(?:-(\\d{1,3}))?(?:@(\\d\\d):(\\d\\d))?(?:!(\\d))?;");
    // What may stand in a begun entry, from its first byte on; group 1 ends where no more fits.
    private static final Pattern BEGUN = Pattern.compile(
        "(\\d{0,3}+(?:(?<=\\d)-\\d{0,3}+)?(?:(?<=\\d)@(?:\\d(?:\\d(?::(?:\\d\\d?)?)?)?)?)?(?:(?<=\\d)!\\d?)?)(.*)");

    final List<Model.Entry> entries = new ArrayList<>();
    int fault = -1;

    ModelReader(String text) {
        int at = 0;
        while (at < text.length() && fault < 0) {
            Matcher m = WHOLE.matcher(text).region(at, text.length());
            boolean whole = m.lookingAt();
            int early = entries.size() == 24 ? at : numberFault(text, at);
            if (early >= 0) {
                fault = early;
            } else if (whole) {
                entries.add(entry(m));
                at = m.end();
            } else {
                Matcher b = BEGUN.matcher(text.substring(at));
                fault = at + (b.matches() ? begunEnd(b.group(1)) : 0);
            }
        }
    }

    /** A begun entry may have been matched past a time that is not whole; then the time is the end. */
    private static int begunEnd(String begun) {
        Matcher m = Pattern.compile("@\\d\\d?(?!\\d|:)|@\\d\\d:\\d(?!\\d)").matcher(begun);
        return m.find() ? m.end() : begun.length();
    }

    private static Model.Entry entry(Matcher m) {
        int first = Integer.parseInt(m.group(1));
        int last = m.group(2) == null ? first : Integer.parseInt(m.group(2));
        int time = m.group(3) == null ? Model.NONE
            : 60 * Integer.parseInt(m.group(3)) + Integer.parseInt(m.group(4));
        return new Model.Entry(first, last, time, m.group(5) == null ? 0 : Integer.parseInt(m.group(5)));
    }

    /** The fault of a number that is too small or too great, if it is read before another fault. */
    private static int numberFault(String text, int at) {
        String rest = text.substring(at);
        Matcher days = Pattern.compile("(\\d{1,3})-(\\d{1,3})(?!\\d)").matcher(rest);
        if (days.lookingAt() && Integer.parseInt(days.group(2)) < Integer.parseInt(days.group(1))) {
            return at + days.end() - 1;
        }
        String begin = "\\d{1,3}(?:-\\d{1,3})?@";
        Matcher hour = Pattern.compile(begin + "(?:2[4-9]|[3-9]\\d)").matcher(rest);
        if (hour.lookingAt()) {
            return at + hour.end() - 1;
        }
        Matcher minute = Pattern.compile(begin + "\\d\\d:[6-9]\\d").matcher(rest);
        return minute.lookingAt() ? at + minute.end() - 1 : -1;
    }
}
