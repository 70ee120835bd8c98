import java.io.IOException;

/**
 * Every sentence of the document, from its first line up to 'Not promised', each held by a test of its own
 * that quotes it: the edges that it names, the numbers just outside, the empty, the full and the refused.
 * Fails, too, if words that are quoted don't stand in the document, and if words of it are in no quotation.
 */
public final class DocumentTest {
    public static void main(String[] args) throws IOException {
        Document document = new Document();
        Checks checks = new Checks("DocumentTest", document);
        new WhatItIs(checks).test();
        new FaceInTheDocument(checks, document).test();
        new TermsOfTheBody(checks).test();
        new TermsOfTidesAndNeedles(checks).test();
        new TermsOfHeights(checks).test();
        new TermsOfReleases(checks).test();
        new TermsOfExceptions(checks).test();
        new PromisesOfTheBody(checks).test();
        new PromisesOfTidesAndNeedles(checks).test();
        new PromisesOfHeights(checks).test();
        new PromisesOfReleases(checks).test();
        checks.dueAllQuoted();
        checks.finish();
    }
}
