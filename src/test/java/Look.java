/** Pictures as texts: a row of cells after the other, a digit for a colour, '.' for 0, '#' for 10 and more. */
final class Look {
    private Look() {
    }

    static String picture(PaneScreen p, int window, int width, int height) {
        StringBuilder text = new StringBuilder();
        for (int v = 0; v < height; v++) {
            for (int u = 0; u < width; u++) {
                text.append(sign(p.picture(window, u, v)));
            }
            text.append(v == height - 1 ? "" : "/");
        }
        return text.toString();
    }

    static String screen(PaneScreen p, int x, int y, int width, int height) {
        StringBuilder text = new StringBuilder();
        for (int row = y; row < y + height; row++) {
            for (int column = x; column < x + width; column++) {
                text.append(sign(p.screen(column, row)));
            }
            text.append(row == y + height - 1 ? "" : "/");
        }
        return text.toString();
    }

    private static char sign(int colour) {
        if (colour == 0) {
            return '.';
        }
        return colour < 10 ? (char) ('0' + colour) : '#';
    }
}
