/** The calls with a window, with arguments that are allowed and, where there are others, with wrong ones. */
enum WindowCall {
    CLOSE(PaneScreen::close, PaneScreen::close),
    MOVE((p, w) -> p.move(w, 1, 1), (p, w) -> p.move(w, 51, -51)),
    RAISE((p, w) -> p.raise(w, true), (p, w) -> p.raise(w, true)),
    LOWER((p, w) -> p.raise(w, false), (p, w) -> p.raise(w, false)),
    PLOT((p, w) -> p.plot(w, 0, 0, 200), (p, w) -> p.plot(w, -1, -1, 256)),
    FILL((p, w) -> p.fill(w, 0, 0, 33, 200), (p, w) -> p.fill(w, 51, 51, 1024, 256)),
    PEN((p, w) -> p.pen(w, 2, 2), (p, w) -> p.pen(w, 51, -51)),
    LINE((p, w) -> p.line(w, 2, 2, 200), (p, w) -> p.line(w, 51, -51, 256)),
    SCROLL((p, w) -> p.scroll(w, 1, 1), (p, w) -> p.scroll(w, 51, -51)),
    PICTURE((p, w) -> p.picture(w, 0, 0), (p, w) -> p.picture(w, -1, 24)),
    VISIBLE(PaneScreen::visible, PaneScreen::visible);

    private interface OnWindow {
        void on(PaneScreen p, int window);
    }

    private final OnWindow right;
    private final OnWindow wrong;

    WindowCall(OnWindow right, OnWindow wrong) {
        this.right = right;
        this.wrong = wrong;
    }

    void on(PaneScreen p, int window) {
        right.on(p, window);
    }

    void withWrongArguments(PaneScreen p, int window) {
        wrong.on(p, window);
    }
}
