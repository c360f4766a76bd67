import java.util.function.Consumer;

/** What a gate answers that is ready for one response: issuers 0 and 1 are trusted, request 0 went to issuer 0. */
final class Take {
    private Take() {
    }

    static int text(String text) {
        return Desk.ready(0, 100).fill(text).gate().consume();
    }

    static String responseText(Consumer<Draft> change) {
        Draft draft = new Draft();
        change.accept(draft);
        return draft.text();
    }

    static int response(Consumer<Draft> change) {
        return text(responseText(change));
    }

    /** A response that is altered after it has been signed. */
    static int altered(String from, String to) {
        return altered(new Draft(), from, to);
    }

    static int altered(Draft draft, String from, String to) {
        String signed = draft.text();
        Due.yes("the draft has " + from, signed.contains(from));
        return text(signed.replace(from, to));
    }

    static String logoutText(Consumer<LogoutDraft> change) {
        LogoutDraft draft = new LogoutDraft();
        change.accept(draft);
        return draft.text();
    }

    static int logout(Consumer<LogoutDraft> change) {
        return text(logoutText(change));
    }

    /** A logout that is altered after it has been signed. */
    static int alteredLogout(String from, String to) {
        String signed = new LogoutDraft().text();
        Due.yes("the draft has " + from, signed.contains(from));
        return text(signed.replace(from, to));
    }
}
