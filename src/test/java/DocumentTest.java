import java.io.IOException;

/**
 * Every sentence of the document's Terms and promises, each held by a test of its own that quotes it: the
 * edges that it names, the numbers just outside, the empty, the full and the refused. Fails, too, if words
 * that are quoted don't stand in the document, and if words of the document are in no quotation.
 */
public final class DocumentTest {
    public static void main(String[] args) throws IOException {
        Checks checks = new Checks("DocumentTest", new Document());
        new TermsOfTheBody(checks).test();
        new TermsOfTidesAndNeedles(checks).test();
        new TermsOfHeights(checks).test();
        new TermsOfReleases(checks).test();
        new TermsOfExceptions(checks).test();
        new PromisesOfTheBody(checks).test();
        new PromisesOfTidesAndNeedles(checks).test();
        new PromisesOfHeights(checks).test();
        new PromisesOfReleases(checks).test();
        checks.dueAllQuoted();
        checks.finish();
    }
}
