import java.util.NoSuchElementException;

/** All that the calls which change nothing tell of an object, as one text. */
final class Seen {
    private Seen() {
    }

    static String of(PaneScreen screen) {
        StringBuilder text = new StringBuilder();
        for (int k = 0; k <= 8; k++) {
            text.append(screen.figure(k)).append(' ');
        }
        for (int y = 0; y < 16; y++) {
            for (int x = 0; x < 24; x++) {
                text.append(screen.screen(x, y)).append('/').append(screen.at(x, y)).append(' ');
            }
        }
        for (int window = 0; window < 8; window++) {
            appendPicture(screen, window, text);
        }
        appendEvent(screen, text);
        return text.toString();
    }

    private static void appendPicture(PaneScreen screen, int window, StringBuilder text) {
        try {
            text.append("\nwindow ").append(window).append(" visible ").append(screen.visible(window)).append(':');
        } catch (NoSuchElementException e) {
            text.append("closed");
            return;
        }
        for (int v = 0; v < 16 && hasCell(screen, window, 0, v); v++) {
            for (int u = 0; u < 24 && hasCell(screen, window, u, v); u++) {
                text.append(' ').append(screen.picture(window, u, v));
            }
            text.append(';');
        }
    }

    private static boolean hasCell(PaneScreen screen, int window, int u, int v) {
        try {
            screen.picture(window, u, v);
            return true;
        } catch (IndexOutOfBoundsException e) {
            return false;
        }
    }

    private static void appendEvent(PaneScreen screen, StringBuilder text) {
        try {
            text.append("\nevent ").append(screen.event(0)).append(' ')
                    .append(screen.event(1)).append(' ').append(screen.event(2));
        } catch (IllegalStateException e) {
            text.append("none taken");
        }
    }
}
